theorem op_sheet : Op2 mX8_sheet mX9_sheet := by
  sorry
theorem op_cell : Op4 mX8_cell mX9_cell := by
  sorry
theorem op_gap : Op2 mX8_gap mX9_gap := by
  sorry
theorem op_lose : Op1 mX8_lose mX9_lose := by
  sorry
theorem op_told : Op2 mX8_told mX9_told := by
  sorry
theorem op_winds : Op2 mX8_winds mX9_winds := by
  sorry
theorem op_wind : Op3 mX8_wind mX9_wind := by
  sorry
theorem op_blows : Op2 mX8_blows mX9_blows := by
  sorry
theorem op_jumper : Op4 mX8_jumper mX9_jumper := by
  sorry
theorem op_group : Op4 mX8_group mX9_group := by
  sorry
theorem op_join : Op2 mX8_join mX9_join := by
  sorry
theorem op_of : Op2 mX8_of mX9_of := by
  sorry
theorem op_plane : Op5 mX8_plane mX9_plane := by
  sorry
theorem op_rule : Op2 mX8_rule mX9_rule := by
  sorry
theorem op_load : Op1 mX8_load mX9_load := by
  sorry
theorem op_put : Op3 mX8_put mX9_put := by
  sorry
theorem op_out : Op2 mX8_out mX9_out := by
  sorry
theorem op_pause : Op3 mX8_pause mX9_pause := by
  sorry
theorem op_start : Op2 mX8_start mX9_start := by
  sorry
theorem op_in : Op2 mX8_in mX9_in_ := by
  sorry
theorem op_where : Op4 mX8_where mX9_where := by
  sorry
theorem op_near : Op3 mX8_near mX9_near := by
  sorry
theorem op_between : Op3 mX8_between mX9_between := by
  sorry
theorem op_order : Op1 mX8_order mX9_order := by
  sorry
theorem op_spot : Op2 mX8_spot mX9_spot := by
  sorry
theorem op_why : Op2 mX8_why mX9_why := by
  sorry
theorem op_leave : Op2 mX8_leave mX9_leave := by
  sorry
theorem op_many : Op1 mX8_many mX9_many := by
  sorry
