/-! sheets that wrap a body: labels 4 * square + turn -/
def lkW (ov d : Int) : Int := if ov = 0 then d else (2 - d) % 4
def sdW (ov d l : Int) : Int := (lkW ov d - l % 4) % 4
def crW (L : Int → Int) (ov d l : Int) : Int := 4 * (L (4 * (l / 4) + sdW ov d l) / 4) + (lkW ov d + 2 - L (4 * (l / 4) + sdW ov d l) % 4) % 4
theorem crW_r {n : Int} {L B : Int → Int} (hg : SKN n L B) {ov d l : Int} (l0 : 0 ≤ l) (l1 : l < 4 * n) : 0 ≤ crW L ov d l ∧ crW L ov d l < 4 * n := by
  have s0 : 0 ≤ sdW ov d l ∧ sdW ov d l < 4 := by unfold sdW; omega
  have r := (hg (l / 4) (sdW ov d l) (by omega) (by omega) s0.1 s0.2).1
  unfold crW
  omega
/-- crossing back -/
theorem crW_inv {n : Int} {L B : Int → Int} (hg : SKN n L B) {ov d l : Int} (d0 : 0 ≤ d) (d1 : d < 4) (l0 : 0 ≤ l) (l1 : l < 4 * n) : crW L ov ((d + 2) % 4) (crW L ov d l) = l := by
  have s0 : 0 ≤ sdW ov d l ∧ sdW ov d l < 4 := by unfold sdW; omega
  obtain ⟨r, iv, -, -⟩ := hg (l / 4) (sdW ov d l) (by omega) (by omega) s0.1 s0.2
  have lk : lkW ov ((d + 2) % 4) % 4 = (lkW ov d + 2) % 4 := by
    unfold lkW
    split <;> omega
  have sd : sdW ov d l = (lkW ov d - l % 4) % 4 := rfl
  generalize hside : sdW ov d l = side at *
  generalize ho : L (4 * (l / 4) + side) = o at *
  have e1 : crW L ov d l = 4 * (o / 4) + (lkW ov d + 2 - o % 4) % 4 := by unfold crW; rw [hside, ho]
  have q : crW L ov d l / 4 = o / 4 := by rw [e1]; omega
  have t : crW L ov d l % 4 = (lkW ov d + 2 - o % 4) % 4 := by rw [e1]; omega
  have e2 : sdW ov ((d + 2) % 4) (crW L ov d l) = o % 4 := by
    unfold sdW
    rw [t]
    omega
  have e3 : L (4 * (crW L ov d l / 4) + sdW ov ((d + 2) % 4) (crW L ov d l)) = 4 * (l / 4) + side := by
    rw [q, e2, show 4 * (o / 4) + o % 4 = o by omega]
    exact iv
  have e4 : crW L ov ((d + 2) % 4) (crW L ov d l) = 4 * ((4 * (l / 4) + side) / 4) + (lkW ov ((d + 2) % 4) + 2 - (4 * (l / 4) + side) % 4) % 4 := by
    rw [← e3]; rfl
  rw [e4]
  omega
