/-- the relation keeps the laws -/
theorem rr_okSim : rr_ok Sim := ⟨O_host, O_weighs, O_goes, O_key, O_drops, O_extra, O_of, O_mark, O_at, O_name, O_share, O_has, O_about, O_would, O_without, O_count, O_type, O_clear, O_does, O_back, O_told, O_digest, fun _ _ _ h => Sim_up h, O_init⟩
