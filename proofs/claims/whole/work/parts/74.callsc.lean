/-! to come -/
