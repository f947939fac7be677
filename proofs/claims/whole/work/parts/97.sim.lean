/-! PURE 32: all calls -/
theorem simAll : SimAll Rel := ⟨sim_reset, sim_poke, sim_peek, sim_store, sim_stored, sim_key, sim_step, sim_run, sim_stopAt, sim_register, sim_put, sim_entry, sim_device, sim_allowed, sim_count, sim_look, sim_place, sim_letter, rel_begin⟩
