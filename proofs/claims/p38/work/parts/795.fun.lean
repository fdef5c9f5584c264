/-! rows as functions: what a change makes of them -/
theorem fup_ff (f : Int → Int) (k a b : Int) : fup (fup f k a) k b = fup f k b := by
  funext j
  unfold fup
  split <;> rfl
theorem icp_in {f h : Int → Int} {a b n j : Int} (h1 : b ≤ j) (h2 : j < b + n) : icp f h a b n j = f (a + (j - b)) := if_pos ⟨h1, h2⟩
theorem icp_out {f h : Int → Int} {a b n j : Int} (h1 : j < b ∨ b + n ≤ j) : icp f h a b n j = h j := if_neg (by omega)
def cslF (f : Int → Int) (s t : Int) : Int → Int := icp f f (18 + 104 * s) (18 + 104 * t) 104
def shaF (f : Int → Int) (p sh : Int) (n : Nat) : Int := sumI (fun k => b01 (f (18 + 104 * k + 13 * p) = sh)) n
/-- a page gets a sheet of its own -/
def chpF (f : Int → Int) (p : Int) : Int → Int := if 0 < shaF f p (f (18 + 104 * 12 + 13 * p)) (f 0).toNat then fup (fup (fup f (18 + 104 * 12 + 13 * p) (f 1)) 1 (f 1 + 1)) 2 (f 2 + 1) else f
theorem shaF_rg (f : Int → Int) (p s : Int) (n : Nat) : 0 ≤ shaF f p s n ∧ shaF f p s n ≤ n := sumI_b (fun k => f (18 + 104 * k + 13 * p) = s) n
theorem chpF_o (f : Int → Int) (p : Int) {j : Int} (h1 : j ≠ 1) (h2 : j ≠ 2) (h3 : j ≠ 18 + 104 * 12 + 13 * p) : chpF f p j = f j := by
  unfold chpF
  split
  · rw [fup_n _ _ h2, fup_n _ _ h1, fup_n _ _ h3]
  · rfl
def putF (f : Int → Int) (p q c v : Int) : Int → Int := fup (fup f (18 + 104 * 12 + 13 * p + 1 + 2 * q) (if v = 0 then 0 else c)) (18 + 104 * 12 + 13 * p + 2 + 2 * q) v
def incF (f : Int → Int) (k : Int) : Int → Int := fup f k (f k + 1)
def swpF (f : Int → Int) (p q o : Int) : Int → Int := putF (putF (chpF f p) p q (chpF f p (18 + 104 * 12 + 13 * p + 1 + 2 * o)) (chpF f p (18 + 104 * 12 + 13 * p + 2 + 2 * o))) p o (chpF f p (18 + 104 * 12 + 13 * p + 1 + 2 * q)) (chpF f p (18 + 104 * 12 + 13 * p + 2 + 2 * q))
/-- an evening comes -/
def eveG (f : Int → Int) : Int → Int := fup f (6 + f 0) (f (6 + f 0 - 1) + 1)
def eveF (f : Int → Int) : Int → Int := incF (cslF (eveG f) 12 (eveG f 0)) 0
theorem eveG_0 {f : Int → Int} (h : 0 ≤ f 0) : eveG f 0 = f 0 := fup_n _ _ (by omega)
theorem cslF_lo (f : Int → Int) {s t j : Int} (ht : 0 ≤ t) (h : j < 18) : cslF f s t j = f j := icp_out (by omega)
/-- a page is taken over -/
def takF (f : Int → Int) (s p : Int) : Int → Int := incF (icp f f (18 + 104 * s + 13 * p) (18 + 104 * 12 + 13 * p) 13) 5
/-- an evening is forgotten -/
def forL (f : Int → Int) (s : Int) : Nat → Int → Int
  | 0 => f
  | n + 1 => cslF (fup (forL f s n) (6 + (s + n)) (forL f s n (6 + (s + n) + 1))) (s + n + 1) (s + n)
def forF (f : Int → Int) (s : Int) : Int → Int := forL (fup f 0 (f 0 - 1)) s (f 0 - 1 - s).toNat
theorem forL_lo (f : Int → Int) {s j : Int} (hs : 0 ≤ s) (hj : j < 6) : ∀ n : Nat, forL f s n j = f j
  | 0 => rfl
  | n + 1 => by
    rw [forL, cslF_lo _ (by omega) (by omega), fup_n _ _ (by omega), forL_lo f hs hj n]
