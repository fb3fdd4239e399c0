theorem ty_fI {G : GG} {S : Sp} {ad : Nat → Nat} {ws : va_W} {i κ ci k : Nat} {fts : List FT} {lo hi : Int} (h : Ty G S ad ws) (hk : Kd S i κ) (hct : S.2.1 κ = .inr (.inr (.inr (ci, fts)))) (hf : fts[k]? = some (0, lo, hi)) : lo ≤ (fI ws i k).toInt ∧ (fI ws i k).toInt ≤ hi := by
  obtain ⟨fs, h1, h2, h3⟩ := h.obj hk hct
  obtain ⟨v, h4, x, rfl, h5, h6⟩ := h3 k _ hf
  unfold fI
  rw [h1]
  simp only [h4]
  exact ⟨h5, h6⟩
theorem fbd_lo {a v : Int32} {lo : Int} (h : a = v) (p : lo ≤ v.toInt) : lo ≤ a.toInt := by rw [h]; exact p
theorem fbd_hi {a v : Int32} {hi : Int} (h : a = v) (p : v.toInt ≤ hi) : a.toInt ≤ hi := by rw [h]; exact p
/-- the hunt: it is settled only when something is known -/
def Hok (ws : va_W) : Prop := (fI ws 104 4).toInt = 0 ∨ 1 ≤ (fI ws 104 3).toInt
theorem Hok.fr {ws ws' : va_W} {M : List Nat} (h : Hok ws) (hF : Fr SC M ws ws') (h1 : 39 ∉ M) : Hok ws' := by
  unfold Hok
  rw [hF.fI kSC_104 h1, hF.fI kSC_104 h1]
  exact h
theorem hok_of {ws : va_W} {a b : Int32} (h : Hok ws) (e1 : fI ws 104 4 = a) (e2 : fI ws 104 3 = b) : a.toInt = 0 ∨ 1 ≤ b.toInt := by
  unfold Hok at h
  rw [e1, e2] at h
  exact h
theorem hok_to {ws : va_W} {a b : Int32} (e1 : fI ws 104 4 = a) (e2 : fI ws 104 3 = b) (h : a.toInt = 0 ∨ 1 ≤ b.toInt) : Hok ws := by
  unfold Hok
  rw [e1, e2]
  exact h
