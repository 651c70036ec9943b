/-! the rows of terms as one thing, and what is done to them -/
abbrev Rows : Type := Int32 × (Nat → Int32) × (Nat → Int32) × (Nat → Int32) × (Nat → Int32) × (Nat → Int32) × (Nat → Int32) × (Nat → Int32) × (Nat → Int32)
def rLeaf (K : Rows) (p1 p2 : Int32) : Option (Int32 × Rows) := f_X9_leaf K.1 K.2.1 K.2.2.1 K.2.2.2.1 K.2.2.2.2.1 K.2.2.2.2.2.1 K.2.2.2.2.2.2.1 K.2.2.2.2.2.2.2.1 K.2.2.2.2.2.2.2.2 p1 p2
def rPair (K : Rows) (p1 p2 p3 : Int32) : Option (Int32 × Rows) := f_X9_pair K.1 K.2.1 K.2.2.1 K.2.2.2.1 K.2.2.2.2.1 K.2.2.2.2.2.1 K.2.2.2.2.2.2.1 K.2.2.2.2.2.2.2.1 K.2.2.2.2.2.2.2.2 p1 p2 p3
def rLift (d : Nat) (K : Rows) (p1 p2 p3 : Int32) : Option (Int32 × Rows) := f_X6_lift d K.1 K.2.1 K.2.2.1 K.2.2.2.1 K.2.2.2.2.1 K.2.2.2.2.2.1 K.2.2.2.2.2.2.1 K.2.2.2.2.2.2.2.1 K.2.2.2.2.2.2.2.2 p1 p2 p3
def rPut (d : Nat) (K : Rows) (p1 p2 p3 : Int32) : Option (Int32 × Rows) := f_X6_put d K.1 K.2.1 K.2.2.1 K.2.2.2.1 K.2.2.2.2.1 K.2.2.2.2.2.1 K.2.2.2.2.2.2.1 K.2.2.2.2.2.2.2.1 K.2.2.2.2.2.2.2.2 p1 p2 p3
def rKind (K : Rows) (p : Int32) : Option Int32 := f_X9_kindOf K.1 K.2.1 p
def rFirst (K : Rows) (p : Int32) : Option Int32 := f_X9_firstOf K.1 K.2.2.1 p
def rSecond (K : Rows) (p : Int32) : Option Int32 := f_X9_secondOf K.1 K.2.2.2.1 p
def rFree (K : Rows) (p : Int32) : Option Int32 := f_X9_freeOf K.1 K.2.2.2.2.2.2.1 p
theorem rLift_step (d : Nat) (K : Rows) (p1 p2 p3 : Int32) : rLift (d + 1) K p1 p2 p3 = (rFree K p1).bind (fun q => if q ≤ p3 then some (p1, K) else if p2 = 0 then some (p1, K) else
    (rKind K p1).bind (fun k => if k = 1 then (rFirst K p1).bind (fun f => (rLeaf K 1 (f + p2)).bind some) else
      (rFirst K p1).bind (fun f => (rLift d K f p2 p3).bind (fun u => if u.1 = (-1) then some ((-1), u.2) else
        (rSecond u.2 p1).bind (fun s => if k = 7 then (rLift d u.2 s p2 p3).bind (fun w => (rPair w.2 k u.1 w.1).bind some) else
          (rLift d u.2 s p2 (p3 + 1)).bind (fun w => (rPair w.2 k u.1 w.1).bind some)))))) := rfl
theorem rPut_step (d : Nat) (K : Rows) (p1 p2 p3 : Int32) : rPut (d + 1) K p1 p2 p3 = (rFree K p1).bind (fun q => if p3 < q then
    (rKind K p1).bind (fun k => if k = 1 then (rFirst K p1).bind (fun f => if f = p3 then (rLift 200 K p2 p3 0).bind some else (rLeaf K 1 (f - 1)).bind some) else
      (rFirst K p1).bind (fun f => (rPut d K f p2 p3).bind (fun u => if u.1 = (-1) then some ((-1), u.2) else
        (rSecond u.2 p1).bind (fun s => if k = 7 then (rPut d u.2 s p2 p3).bind (fun w => (rPair w.2 k u.1 w.1).bind some) else
          (rPut d u.2 s p2 (p3 + 1)).bind (fun w => (rPair w.2 k u.1 w.1).bind some))))) else some (p1, K)) := rfl
