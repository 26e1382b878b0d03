theorem pL_sI (S : PS) (j a : Nat) (v : Int32) : pL (sI S j a v) = pL S := rfl
theorem pK_sI (S : PS) (j a : Nat) (v : Int32) : pK (sI S j a v) = pK S := rfl
theorem fI_sI (S : PS) (j a : Nat) (v : Int32) (j1 a1 : Nat) : fI (sI S j a v) j1 a1 = if j1 = j ∧ a1 = a then v else fI S j1 a1 := rfl
theorem fL_sI (S : PS) (j a : Nat) (v : Int32) : fL (sI S j a v) = fL S := rfl
theorem fR_sI (S : PS) (j a : Nat) (v : Int32) : fR (sI S j a v) = fR S := rfl
theorem aN_sI (S : PS) (j a : Nat) (v : Int32) : aN (sI S j a v) = aN S := rfl
theorem aI_sI (S : PS) (j a : Nat) (v : Int32) : aI (sI S j a v) = aI S := rfl
theorem aL_sI (S : PS) (j a : Nat) (v : Int32) : aL (sI S j a v) = aL S := rfl
theorem aR_sI (S : PS) (j a : Nat) (v : Int32) : aR (sI S j a v) = aR S := rfl
theorem pL_sL (S : PS) (j a : Nat) (v : Int64) : pL (sL S j a v) = pL S := rfl
theorem pK_sL (S : PS) (j a : Nat) (v : Int64) : pK (sL S j a v) = pK S := rfl
theorem fI_sL (S : PS) (j a : Nat) (v : Int64) : fI (sL S j a v) = fI S := rfl
theorem fL_sL (S : PS) (j a : Nat) (v : Int64) (j1 a1 : Nat) : fL (sL S j a v) j1 a1 = if j1 = j ∧ a1 = a then v else fL S j1 a1 := rfl
theorem fR_sL (S : PS) (j a : Nat) (v : Int64) : fR (sL S j a v) = fR S := rfl
theorem aN_sL (S : PS) (j a : Nat) (v : Int64) : aN (sL S j a v) = aN S := rfl
theorem aI_sL (S : PS) (j a : Nat) (v : Int64) : aI (sL S j a v) = aI S := rfl
theorem aL_sL (S : PS) (j a : Nat) (v : Int64) : aL (sL S j a v) = aL S := rfl
theorem aR_sL (S : PS) (j a : Nat) (v : Int64) : aR (sL S j a v) = aR S := rfl
theorem pL_sR (S : PS) (j a : Nat) (v : Option Nat) : pL (sR S j a v) = pL S := rfl
theorem pK_sR (S : PS) (j a : Nat) (v : Option Nat) : pK (sR S j a v) = pK S := rfl
theorem fI_sR (S : PS) (j a : Nat) (v : Option Nat) : fI (sR S j a v) = fI S := rfl
theorem fL_sR (S : PS) (j a : Nat) (v : Option Nat) : fL (sR S j a v) = fL S := rfl
theorem fR_sR (S : PS) (j a : Nat) (v : Option Nat) (j1 a1 : Nat) : fR (sR S j a v) j1 a1 = if j1 = j ∧ a1 = a then v else fR S j1 a1 := rfl
theorem aN_sR (S : PS) (j a : Nat) (v : Option Nat) : aN (sR S j a v) = aN S := rfl
theorem aI_sR (S : PS) (j a : Nat) (v : Option Nat) : aI (sR S j a v) = aI S := rfl
theorem aL_sR (S : PS) (j a : Nat) (v : Option Nat) : aL (sR S j a v) = aL S := rfl
theorem aR_sR (S : PS) (j a : Nat) (v : Option Nat) : aR (sR S j a v) = aR S := rfl
theorem pL_wI (S : PS) (r a i : Nat) (v : Int32) : pL (wI S r a i v) = pL S := rfl
theorem pK_wI (S : PS) (r a i : Nat) (v : Int32) : pK (wI S r a i v) = pK S := rfl
theorem fI_wI (S : PS) (r a i : Nat) (v : Int32) : fI (wI S r a i v) = fI S := rfl
theorem fL_wI (S : PS) (r a i : Nat) (v : Int32) : fL (wI S r a i v) = fL S := rfl
theorem fR_wI (S : PS) (r a i : Nat) (v : Int32) : fR (wI S r a i v) = fR S := rfl
theorem aN_wI (S : PS) (r a i : Nat) (v : Int32) : aN (wI S r a i v) = aN S := rfl
theorem aI_wI (S : PS) (r a i : Nat) (v : Int32) (r1 a1 i1 : Nat) : aI (wI S r a i v) r1 a1 i1 = if r1 = r ∧ a1 = a ∧ i1 = i then v else aI S r1 a1 i1 := rfl
theorem aL_wI (S : PS) (r a i : Nat) (v : Int32) : aL (wI S r a i v) = aL S := rfl
theorem aR_wI (S : PS) (r a i : Nat) (v : Int32) : aR (wI S r a i v) = aR S := rfl
theorem pL_wL (S : PS) (r a i : Nat) (v : Int64) : pL (wL S r a i v) = pL S := rfl
theorem pK_wL (S : PS) (r a i : Nat) (v : Int64) : pK (wL S r a i v) = pK S := rfl
theorem fI_wL (S : PS) (r a i : Nat) (v : Int64) : fI (wL S r a i v) = fI S := rfl
theorem fL_wL (S : PS) (r a i : Nat) (v : Int64) : fL (wL S r a i v) = fL S := rfl
theorem fR_wL (S : PS) (r a i : Nat) (v : Int64) : fR (wL S r a i v) = fR S := rfl
theorem aN_wL (S : PS) (r a i : Nat) (v : Int64) : aN (wL S r a i v) = aN S := rfl
theorem aI_wL (S : PS) (r a i : Nat) (v : Int64) : aI (wL S r a i v) = aI S := rfl
theorem aL_wL (S : PS) (r a i : Nat) (v : Int64) (r1 a1 i1 : Nat) : aL (wL S r a i v) r1 a1 i1 = if r1 = r ∧ a1 = a ∧ i1 = i then v else aL S r1 a1 i1 := rfl
theorem aR_wL (S : PS) (r a i : Nat) (v : Int64) : aR (wL S r a i v) = aR S := rfl
theorem pL_wR (S : PS) (r a i : Nat) (v : Option Nat) : pL (wR S r a i v) = pL S := rfl
theorem pK_wR (S : PS) (r a i : Nat) (v : Option Nat) : pK (wR S r a i v) = pK S := rfl
theorem fI_wR (S : PS) (r a i : Nat) (v : Option Nat) : fI (wR S r a i v) = fI S := rfl
theorem fL_wR (S : PS) (r a i : Nat) (v : Option Nat) : fL (wR S r a i v) = fL S := rfl
theorem fR_wR (S : PS) (r a i : Nat) (v : Option Nat) : fR (wR S r a i v) = fR S := rfl
theorem aN_wR (S : PS) (r a i : Nat) (v : Option Nat) : aN (wR S r a i v) = aN S := rfl
theorem aI_wR (S : PS) (r a i : Nat) (v : Option Nat) : aI (wR S r a i v) = aI S := rfl
theorem aL_wR (S : PS) (r a i : Nat) (v : Option Nat) : aL (wR S r a i v) = aL S := rfl
theorem aR_wR (S : PS) (r a i : Nat) (v : Option Nat) (r1 a1 i1 : Nat) : aR (wR S r a i v) r1 a1 i1 = if r1 = r ∧ a1 = a ∧ i1 = i then v else aR S r1 a1 i1 := rfl
theorem pL_wW (S : PS) (r a : Nat) (f : Nat → Int32) : pL (wW S r a f) = pL S := rfl
theorem pK_wW (S : PS) (r a : Nat) (f : Nat → Int32) : pK (wW S r a f) = pK S := rfl
theorem fI_wW (S : PS) (r a : Nat) (f : Nat → Int32) : fI (wW S r a f) = fI S := rfl
theorem fL_wW (S : PS) (r a : Nat) (f : Nat → Int32) : fL (wW S r a f) = fL S := rfl
theorem fR_wW (S : PS) (r a : Nat) (f : Nat → Int32) : fR (wW S r a f) = fR S := rfl
theorem aN_wW (S : PS) (r a : Nat) (f : Nat → Int32) : aN (wW S r a f) = aN S := rfl
theorem aI_wW (S : PS) (r a : Nat) (f : Nat → Int32) (r1 a1 : Nat) : aI (wW S r a f) r1 a1 = if r1 = r ∧ a1 = a then f else aI S r1 a1 := rfl
theorem aL_wW (S : PS) (r a : Nat) (f : Nat → Int32) : aL (wW S r a f) = aL S := rfl
theorem aR_wW (S : PS) (r a : Nat) (f : Nat → Int32) : aR (wW S r a f) = aR S := rfl
theorem pL_nA (S : PS) (r q N : Nat) : pL (nA S r q N) = pL S ++ [q] := rfl
theorem pK_nA (S : PS) (r q N a : Nat) : pK (nA S r q N) a = if a = q then r else pK S a := rfl
theorem aN_nA (S : PS) (r q N a : Nat) : aN (nA S r q N) a = if a = q then N else aN S a := rfl
theorem aI_nA (S : PS) (r q N r1 a i : Nat) : aI (nA S r q N) r1 a i = if a = q then 0 else aI S r1 a i := rfl
theorem aL_nA (S : PS) (r q N r1 a i : Nat) : aL (nA S r q N) r1 a i = if a = q then 0 else aL S r1 a i := rfl
theorem aR_nA (S : PS) (r q N r1 a i : Nat) : aR (nA S r q N) r1 a i = if a = q then none else aR S r1 a i := rfl
theorem fI_nA (S : PS) (r q N : Nat) : fI (nA S r q N) = fI S := rfl
theorem fL_nA (S : PS) (r q N : Nat) : fL (nA S r q N) = fL S := rfl
theorem fR_nA (S : PS) (r q N : Nat) : fR (nA S r q N) = fR S := rfl
theorem pL_nO (S : PS) (k q : Nat) : pL (nO S k q) = pL S ++ [q] := rfl
theorem pK_nO (S : PS) (k q a : Nat) : pK (nO S k q) a = if a = q then k else pK S a := rfl
theorem fI_nO (S : PS) (k q j a : Nat) : fI (nO S k q) j a = if a = q then 0 else fI S j a := rfl
theorem fL_nO (S : PS) (k q j a : Nat) : fL (nO S k q) j a = if a = q then 0 else fL S j a := rfl
theorem fR_nO (S : PS) (k q j a : Nat) : fR (nO S k q) j a = if a = q then none else fR S j a := rfl
theorem aN_nO (S : PS) (k q : Nat) : aN (nO S k q) = aN S := rfl
theorem aI_nO (S : PS) (k q : Nat) : aI (nO S k q) = aI S := rfl
theorem aL_nO (S : PS) (k q : Nat) : aL (nO S k q) = aL S := rfl
theorem aR_nO (S : PS) (k q : Nat) : aR (nO S k q) = aR S := rfl
