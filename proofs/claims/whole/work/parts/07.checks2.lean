theorem m_all_cut {α : Type} {p : α → Bool} {l : List α} (n : Nat) (h1 : (l.take n).all p = true) (h2 : (l.drop n).all p = true) : l.all p = true := by
  rw [← List.take_append_drop n l, List.all_append, h1, h2]
  rfl
def m_lawp (pc : Nat) : Bool := match m_nth (m_nth mr_168.1 (pc / 16) []) (pc % 16) none with
  | none => true
  | some e => m_c1 mr_168.2.2.2.2.2.1 mr_168.2.2.2.1 mr_168.2.1 pc e
theorem m_lw0 : (((List.range 1136).drop 0).take 48).all m_lawp = true := by decide +kernel
theorem m_lw1 : (((List.range 1136).drop 48).take 48).all m_lawp = true := by decide +kernel
theorem m_lw2 : (((List.range 1136).drop 96).take 48).all m_lawp = true := by decide +kernel
theorem m_lw3 : (((List.range 1136).drop 144).take 48).all m_lawp = true := by decide +kernel
theorem m_lw4 : (((List.range 1136).drop 192).take 48).all m_lawp = true := by decide +kernel
theorem m_lw5 : (((List.range 1136).drop 240).take 48).all m_lawp = true := by decide +kernel
theorem m_lw6 : (((List.range 1136).drop 288).take 48).all m_lawp = true := by decide +kernel
theorem m_lw7 : (((List.range 1136).drop 336).take 48).all m_lawp = true := by decide +kernel
theorem m_lw8 : (((List.range 1136).drop 384).take 48).all m_lawp = true := by decide +kernel
theorem m_lw9 : (((List.range 1136).drop 432).take 48).all m_lawp = true := by decide +kernel
theorem m_lw10 : (((List.range 1136).drop 480).take 48).all m_lawp = true := by decide +kernel
theorem m_lw11 : (((List.range 1136).drop 528).take 48).all m_lawp = true := by decide +kernel
theorem m_lw12 : (((List.range 1136).drop 576).take 48).all m_lawp = true := by decide +kernel
theorem m_lw13 : (((List.range 1136).drop 624).take 48).all m_lawp = true := by decide +kernel
theorem m_lw14 : (((List.range 1136).drop 672).take 48).all m_lawp = true := by decide +kernel
theorem m_lw15 : (((List.range 1136).drop 720).take 48).all m_lawp = true := by decide +kernel
theorem m_lw16 : (((List.range 1136).drop 768).take 48).all m_lawp = true := by decide +kernel
theorem m_lw17 : (((List.range 1136).drop 816).take 48).all m_lawp = true := by decide +kernel
theorem m_lw18 : (((List.range 1136).drop 864).take 48).all m_lawp = true := by decide +kernel
theorem m_lw19 : (((List.range 1136).drop 912).take 48).all m_lawp = true := by decide +kernel
theorem m_lw20 : (((List.range 1136).drop 960).take 48).all m_lawp = true := by decide +kernel
theorem m_lw21 : (((List.range 1136).drop 1008).take 48).all m_lawp = true := by decide +kernel
theorem m_lw22 : (((List.range 1136).drop 1056).take 48).all m_lawp = true := by decide +kernel
theorem m_lw23 : (((List.range 1136).drop 1104).take 48).all m_lawp = true := by decide +kernel
theorem m_lwz24 : ((List.range 1136).drop 1152).all m_lawp = true := by decide +kernel
theorem m_lwz23 : ((List.range 1136).drop 1104).all m_lawp = true := m_all_cut 48 m_lw23 (by rw [List.drop_drop]; exact m_lwz24)
theorem m_lwz22 : ((List.range 1136).drop 1056).all m_lawp = true := m_all_cut 48 m_lw22 (by rw [List.drop_drop]; exact m_lwz23)
theorem m_lwz21 : ((List.range 1136).drop 1008).all m_lawp = true := m_all_cut 48 m_lw21 (by rw [List.drop_drop]; exact m_lwz22)
theorem m_lwz20 : ((List.range 1136).drop 960).all m_lawp = true := m_all_cut 48 m_lw20 (by rw [List.drop_drop]; exact m_lwz21)
theorem m_lwz19 : ((List.range 1136).drop 912).all m_lawp = true := m_all_cut 48 m_lw19 (by rw [List.drop_drop]; exact m_lwz20)
theorem m_lwz18 : ((List.range 1136).drop 864).all m_lawp = true := m_all_cut 48 m_lw18 (by rw [List.drop_drop]; exact m_lwz19)
theorem m_lwz17 : ((List.range 1136).drop 816).all m_lawp = true := m_all_cut 48 m_lw17 (by rw [List.drop_drop]; exact m_lwz18)
theorem m_lwz16 : ((List.range 1136).drop 768).all m_lawp = true := m_all_cut 48 m_lw16 (by rw [List.drop_drop]; exact m_lwz17)
theorem m_lwz15 : ((List.range 1136).drop 720).all m_lawp = true := m_all_cut 48 m_lw15 (by rw [List.drop_drop]; exact m_lwz16)
theorem m_lwz14 : ((List.range 1136).drop 672).all m_lawp = true := m_all_cut 48 m_lw14 (by rw [List.drop_drop]; exact m_lwz15)
theorem m_lwz13 : ((List.range 1136).drop 624).all m_lawp = true := m_all_cut 48 m_lw13 (by rw [List.drop_drop]; exact m_lwz14)
theorem m_lwz12 : ((List.range 1136).drop 576).all m_lawp = true := m_all_cut 48 m_lw12 (by rw [List.drop_drop]; exact m_lwz13)
theorem m_lwz11 : ((List.range 1136).drop 528).all m_lawp = true := m_all_cut 48 m_lw11 (by rw [List.drop_drop]; exact m_lwz12)
theorem m_lwz10 : ((List.range 1136).drop 480).all m_lawp = true := m_all_cut 48 m_lw10 (by rw [List.drop_drop]; exact m_lwz11)
theorem m_lwz9 : ((List.range 1136).drop 432).all m_lawp = true := m_all_cut 48 m_lw9 (by rw [List.drop_drop]; exact m_lwz10)
theorem m_lwz8 : ((List.range 1136).drop 384).all m_lawp = true := m_all_cut 48 m_lw8 (by rw [List.drop_drop]; exact m_lwz9)
theorem m_lwz7 : ((List.range 1136).drop 336).all m_lawp = true := m_all_cut 48 m_lw7 (by rw [List.drop_drop]; exact m_lwz8)
theorem m_lwz6 : ((List.range 1136).drop 288).all m_lawp = true := m_all_cut 48 m_lw6 (by rw [List.drop_drop]; exact m_lwz7)
theorem m_lwz5 : ((List.range 1136).drop 240).all m_lawp = true := m_all_cut 48 m_lw5 (by rw [List.drop_drop]; exact m_lwz6)
theorem m_lwz4 : ((List.range 1136).drop 192).all m_lawp = true := m_all_cut 48 m_lw4 (by rw [List.drop_drop]; exact m_lwz5)
theorem m_lwz3 : ((List.range 1136).drop 144).all m_lawp = true := m_all_cut 48 m_lw3 (by rw [List.drop_drop]; exact m_lwz4)
theorem m_lwz2 : ((List.range 1136).drop 96).all m_lawp = true := m_all_cut 48 m_lw2 (by rw [List.drop_drop]; exact m_lwz3)
theorem m_lwz1 : ((List.range 1136).drop 48).all m_lawp = true := m_all_cut 48 m_lw1 (by rw [List.drop_drop]; exact m_lwz2)
theorem m_lwz0 : ((List.range 1136).drop 0).all m_lawp = true := m_all_cut 48 m_lw0 (by rw [List.drop_drop]; exact m_lwz1)
theorem m_ok168 : m_okr mr_168 = true := by
  have h0 : 16 * mr_168.1.length = 1136 := by decide +kernel
  have h1 : (List.range (16 * mr_168.1.length)).all m_lawp = true := by
    have h := m_lwz0
    rw [List.drop_zero] at h
    rw [h0]
    exact h
  have h2 : (Nat.ble mr_168.2.2.2.1 21 && decide (m_on mr_168.2.2.2.2.2.1 = mr_168.2.2.1.cls)) = true := by decide +kernel
  show (_ && (List.range (16 * mr_168.1.length)).all m_lawp) = true
  rw [h1, Bool.and_true]
  exact h2
