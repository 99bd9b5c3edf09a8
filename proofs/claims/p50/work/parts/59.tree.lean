def setL (l : Nat → Int) (p : Nat) (v : Int) : Nat → Int := fun q => if q = p then v else l q
